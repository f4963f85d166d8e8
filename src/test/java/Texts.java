/** Types whole texts into an object. */
final class Texts {
    private Texts() {
    }

    static void write(MiddleSpans x, String text) {
        x.clearText();
        for (int i = 0; i < text.length(); i++) {
            x.type(text.charAt(i));
        }
    }

    static int read(MiddleSpans x, String text) {
        write(x, text);
        return x.readSpans();
    }
}
