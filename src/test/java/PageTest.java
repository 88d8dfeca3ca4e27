/** Promises 1 to 5: a new object, letter, blank, fault, ring. */
public final class PageTest {
    private static final Due due = new Due("PageTest");

    public static void main(String[] args) {
        newObject();
        letter();
        blank();
        fault();
        faultByEachCode();
        ring();
        ringIsGone();
        due.end();
    }

    private static void newObject() {
        RingOfThirds x = new RingOfThirds();
        int[] counts = {0, RingOfThirds.NONE, 0, 0, 0, 0, 0, 0, 0, 0};
        for (int what = 0; what < counts.length; what++) {
            due.is("new: count(" + what + ")", x.count(what), counts[what]);
        }
        due.is("new: ring()", x.ring(), RingOfThirds.STATE);
        due.is("new: image()", x.image(), RingOfThirds.STATE);
        due.is("new: restore()", x.restore(), RingOfThirds.STATE);
        due.is("new: about(0, 0)", x.about(0, 0), RingOfThirds.UNKNOWN);
        due.is("new: pass(0)", x.pass(0), RingOfThirds.UNKNOWN);
    }

    private static void letter() {
        RingOfThirds x = new RingOfThirds();
        for (int i = 1; i <= 10; i++) due.of("letters", x, i, "letter", "dswc;25~!x".charAt(i - 1));
        due.of("letters", x, 10, "count", 8);
        due.of("letters", x, 7, "fault");
    }

    private static void blank() {
        RingOfThirds x = Texts.page("pp;0");
        due.is("blank()", x.blank(), 4);
        due.is("blank() again", x.blank(), 0);
        due.is("count(8)", x.count(8), 0);
        Texts.type(x, "cc;11");
        due.is("ring() of what came behind blank()", x.ring(), 2);
        due.is("about(0, 0)", x.about(0, 0), 1);
    }

    private static void fault() {
        faultOf("", 0);
        faultOf("p", 1);
        faultOf("pcsw", 4);
        faultOf("dd;3", 4);
        faultOf("dd;37", 5);
        faultOf("pcsw;37", 7);
        faultOf("P", 0);
        faultOf(";", 0);
        faultOf("p;", 1);
        faultOf("px", 1);
        faultOf("p;00", 1);
        faultOf("ppppp", 4);
        faultOf("ppppp;00", 4);
        faultOf("pp;4", 3);
        faultOf("pp;p", 3);
        faultOf("pp;/", 3);
        faultOf("pp;08", 4);
        faultOf("pp;0/", 4);
        faultOf("pp;000", 5);
        faultOf("pcsw;000", 7);
        faultOf("pp;00p;00", 5);
        faultOf("pp:00", 2);
        faultOf("pp0", 2);
    }

    private static void faultOf(String text, int want) {
        due.is("fault() of '" + text + "'", Texts.page(text).fault(), want);
    }

    /** Behind each text ahead, just the letters told go on with a RING: PEOPLE 2 to 4, STONE 0 to 3, WORD 0 to 7. */
    private static void faultByEachCode() {
        codesAre("", "pcswd");
        codesAre("p", "pcswd");
        codesAre("pc", "pcswd;");
        codesAre("pcs", "pcswd;");
        codesAre("pcsw", ";");
        codesAre("dd;", "0123");
        codesAre("pcsw;", "0123");
        codesAre("dd;3", "01234567");
        codesAre("pcsw;0", "01234567");
        codesAre("dd;37", "");
        codesAre("pcsw;00", "");
    }

    private static void codesAre(String ahead, String going) {
        for (int code = 1; code <= 126; code++) {
            String text = ahead + (char) code;
            boolean goesOn = going.indexOf(code) >= 0;
            boolean isRing = text.matches("[pcswd]{2,4};[0-3][0-7]");
            RingOfThirds x = Texts.page(text);
            String where = "'" + ahead + "' and code " + code;
            due.of(where, x, goesOn ? text.length() : ahead.length(), "fault");
            due.of(where, x, isRing ? text.indexOf(';') : RingOfThirds.STATE, "ring");
        }
    }

    private static void ring() {
        RingOfThirds x = Texts.page("dswc;25");
        due.is("ring()", x.ring(), 4);
        due.is("count(8)", x.count(8), 0);
        due.is("count(0)", x.count(0), 4);
        due.is("count(1)", x.count(1), 0);
        due.is("count(2)", x.count(2), 2);
        due.is("count(3)", x.count(3), 5);
        due.is("count(9)", x.count(9), 1);
        for (String text : new String[] {"", "p", "pp", "pp;", "pp;0", "p;00", "pp;000", "pp;40", "pp;08", "ppppp;00"}) {
            RingOfThirds y = Texts.page(text);
            due.is("ring() of '" + text + "'", y.ring(), RingOfThirds.STATE);
            due.is("count(8) of '" + text + "'", y.count(8), text.length());
            due.is("count(9) of '" + text + "'", y.count(9), 0);
        }
        String[] rings = {"pc;00", "swd;31", "pppp;37"};
        for (String text : rings) due.is("ring() of '" + text + "'", Texts.page(text).ring(), text.length() - 3);
    }

    private static void ringIsGone() {
        RingOfThirds x = Texts.ring("cswd;15");
        x.pass(1);
        x.claim(0);
        x.look(1, 0, 0);
        x.image();
        Texts.type(x, "pp;0");
        due.is("ring() of a part", x.ring(), RingOfThirds.STATE);
        due.is("count(4) of the one that stays", x.count(4), 1);
        x.letter('3');
        due.is("ring() of another", x.ring(), 2);
        int[] counts = {2, 0, 0, 3, 0, 0, 0, 0, 0, 2};
        for (int what = 0; what < counts.length; what++) {
            due.is("another: count(" + what + ")", x.count(what), counts[what]);
        }
        due.is("another: about(0, 2)", x.about(0, 2), RingOfThirds.NONE);
        due.is("another: about(0, 4)", x.about(0, 4), 0);
        due.is("another: about(2, 0)", x.about(2, 0), RingOfThirds.UNKNOWN);
        due.is("another: restore()", x.restore(), RingOfThirds.STATE);
    }
}
