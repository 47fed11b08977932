/** Promises 2 and 3: the TAPE. */
public final class TapeTest {
    public static void main(String[] args) {
        GlassHill x = new GlassHill();
        for (int fed = 20; fed <= 400; fed += 20) {
            Checks.due("feed to " + fed, fed, x.feed(0, 0, 0, 0, 0));
        }
        Checks.due("feed beyond 400", -1, x.feed(1, 1, 1, 1, 1));
        Checks.due("end(401)", false, x.end(401));
        Checks.due("end(400)", true, x.end(400));
        Checks.due("end(-1)", false, x.end(-1));
        Checks.due("end(MIN)", false, x.end(Integer.MIN_VALUE));
        Checks.due("end(381)", true, x.end(381));
        Checks.due("feed that would come to 401", -1, x.feed(0, 0, 0, 0, 0));
        Checks.due("end(382) of 381", false, x.end(382));
        Checks.due("end(380)", true, x.end(380));
        Checks.due("feed to 400 again", 400, x.feed(0, 0, 0, 0, 0));
        Checks.due("end(0)", true, x.end(0));
        Checks.due("end(1) of 0", false, x.end(1));
        orderOfBytes();
        longestText();
        cutOff();
        Checks.finish("TapeTest");
    }

    /** The highest byte comes first: "plac" "e;pl" "ace ". */
    private static void orderOfBytes() {
        GlassHill x = new GlassHill();
        Checks.due("feed", 20, x.feed(0x706c6163, 0x653b706c, 0x61636520, 0x20202020, 0x202020ff));
        Checks.due("end(19)", true, x.end(19));
        Checks.due("tale", 1, x.tale());
        Checks.due("two places", 2, x.count(0));
        Checks.due("feed behind a tape used up", 20, x.feed(0x70000000, 0, 0, 0, 0));
        Checks.illegalArgument("tale of p and zeros", x::tale);
        Checks.due("fault", 0, x.fault());
    }

    /** What was cut off, or used up, is not read on into. */
    private static void cutOff() {
        GlassHill x = new GlassHill();
        cut(x, "place;places", 1);
        Checks.due("tale", 1, x.tale());
        cut(x, "road 0 1 long 12", 1);
        Checks.due("tale", 2, x.tale());
        Checks.due("long", 1, x.road(0, 2));
        cut(x, "bar if hour < 3;bar", 4);
        Checks.due("law", 1, x.law());
        cut(x, "bar if 1 < 2", 1);
        Checks.illegalArgument("law", x::law);
        Checks.due("fault", 11, x.fault());
        cut(x, "place;", 1);
        Checks.due("tale", 3, x.tale());
        Checks.tape(x, 5, 1, 7, 0);
        x.end(2);
        Checks.due("locks", 16, x.locks(false));
        Checks.due("and none told", 81, x.locks(false));
    }

    private static void cut(GlassHill x, String text, int less) {
        Checks.tape(x, text);
        Checks.due("cut", true, x.end(text.length() - less));
    }

    private static void longestText() {
        GlassHill x = new GlassHill();
        StringBuilder text = new StringBuilder("place");
        while (text.length() < 400) {
            text.append(' ');
        }
        Checks.rightTale(x, text.toString());
        text.setCharAt(399, ';');
        Checks.wrongTale(x, text.toString(), 400);
        text.setCharAt(399, 'x');
        Checks.wrongTale(x, text.toString(), 399);
    }
}
