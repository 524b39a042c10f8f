/** Puts whole graph texts into a placer. */
final class Texts {
    private Texts() {
    }

    static void put(EdgeCounterPlacer placer, String text) {
        placer.clearText();
        for (int i = 0; i < text.length(); i++) {
            placer.append(text.charAt(i));
        }
    }

    /** A new placer that was configured by a text; one that does not configure is a fault of the test. */
    static EdgeCounterPlacer configured(String text) {
        EdgeCounterPlacer placer = new EdgeCounterPlacer();
        put(placer, text);
        if (placer.configure() < 0) {
            throw new IllegalStateException("the test's text does not configure: " + text);
        }
        return placer;
    }
}
