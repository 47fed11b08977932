/** Promises 2 and 3: the TAPE. */
public final class TapeTest {
    public static void main(String[] args) {
        GlassHill x = new GlassHill();
        for (int fed = 20; fed <= 400; fed += 20) {
            Checks.due("feed to " + fed, fed, x.feed(0, 0, 0, 0, 0));
        }
        Checks.due("feed beyond 400", -1, x.feed(1, 1, 1, 1, 1));
        Checks.due("end(401)", false, x.end(401));
        Checks.due("end(400)", true, x.end(400));
        Checks.due("end(-1)", false, x.end(-1));
        Checks.due("end(MIN)", false, x.end(Integer.MIN_VALUE));
        Checks.due("end(381)", true, x.end(381));
        Checks.due("feed that would come to 401", -1, x.feed(0, 0, 0, 0, 0));
        Checks.due("end(382) of 381", false, x.end(382));
        Checks.due("end(380)", true, x.end(380));
        Checks.due("feed to 400 again", 400, x.feed(0, 0, 0, 0, 0));
        Checks.due("end(0)", true, x.end(0));
        Checks.due("end(1) of 0", false, x.end(1));
        orderOfBytes();
        longestText();
        Checks.finish("TapeTest");
    }

    /** The highest byte comes first: "plac" "e;pl" "ace ". */
    private static void orderOfBytes() {
        GlassHill x = new GlassHill();
        Checks.due("feed", 20, x.feed(0x706c6163, 0x653b706c, 0x61636520, 0x20202020, 0x202020ff));
        Checks.due("end(19)", true, x.end(19));
        Checks.due("tale", 1, x.tale());
        Checks.due("two places", 2, x.count(0));
        Checks.due("feed behind a tape used up", 20, x.feed(0x70000000, 0, 0, 0, 0));
        Checks.illegalArgument("tale of p and zeros", x::tale);
        Checks.due("fault", 0, x.fault());
    }

    private static void longestText() {
        GlassHill x = new GlassHill();
        StringBuilder text = new StringBuilder("place");
        while (text.length() < 400) {
            text.append(' ');
        }
        Checks.rightTale(x, text.toString());
        text.setCharAt(399, ';');
        Checks.wrongTale(x, text.toString(), 400);
        text.setCharAt(399, 'x');
        Checks.wrongTale(x, text.toString(), 399);
    }
}
