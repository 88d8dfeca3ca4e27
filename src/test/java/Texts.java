/** Puts texts on THE PAGE. */
final class Texts {
    private Texts() {
    }

    static void type(RingOfThirds x, String text) {
        for (int i = 0; i < text.length(); i++) x.letter(text.charAt(i));
    }

    static RingOfThirds page(String text) {
        RingOfThirds x = new RingOfThirds();
        type(x, text);
        return x;
    }

    static RingOfThirds ring(String text) {
        RingOfThirds x = page(text);
        x.ring();
        return x;
    }
}
