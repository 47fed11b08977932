/** Promises 4 and 6 to 11, 13: a tale, where it is wrong, and what it told. */
public final class TaleTest {
    public static void main(String[] args) {
        right();
        wrongLines();
        tooMany();
        nothingStays();
        twelveTexts();
        whatWasTold();
        wrongAsked();
        fits();
        Checks.finish("TaleTest");
    }

    private static void right() {
        GlassHill x = new GlassHill();
        Checks.rightTale(x, "");
        Checks.rightTale(x, "     ");
        Checks.rightTale(x, "  place ;place  ;  place  ");
        Checks.rightTale(x, "thing5worth10at0;road0 1long2chance50;keeper 2lock15 15eats0to23takes has0worth99");
        Checks.rightTale(x, "thing 015 worth 001 at 002;road 2 1 long 009 chance 100");
        Checks.rightTale(x, "keeper 0 lock 0 0 eats 5 to 5;keeper 1 lock 1 2 has 0 worth 1");
        Checks.rightTale(x, "brother 0 lock 0 0 way 99 due 999;brother 0 lock 1 1 way 0 due 0");
        Checks.due("places", 3, x.count(0));
        Checks.due("things", 4, x.count(1));
        Checks.due("roads", 2, x.count(2));
        Checks.due("brothers", 2, x.count(3));
        Checks.due("keepers", 3, x.count(4));
        Checks.due("texts", 7, x.count(5));
    }

    private static void wrongLines() {
        GlassHill x = Checks.told("place;place");
        Checks.wrongTale(x, ";", 0);
        Checks.wrongTale(x, "  ;place", 2);
        Checks.wrongTale(x, "place;;place", 6);
        Checks.wrongTale(x, "place;", 6);
        Checks.wrongTale(x, "place;   ", 9);
        Checks.wrongTale(x, "place place", 6);
        Checks.wrongTale(x, "places", 0);
        Checks.wrongTale(x, "plac", 0);
        Checks.wrongTale(x, "place7", 5);
        Checks.wrongTale(x, "Place", 0);
        Checks.wrongTale(x, "placE", 0);
        Checks.wrongTale(x, "place\t", 5);
        Checks.wrongTale(x, "place\u00e9", 5);
        Checks.wrongTale(x, "place{", 5);
        Checks.wrongTale(x, "place`", 5);
        Checks.wrongTale(x, "7", 0);
        Checks.wrongTale(x, "thing", 5);
        Checks.wrongTale(x, "thing   ", 8);
        Checks.wrongTale(x, "thing worth", 6);
        Checks.wrongTale(x, "thing 16 worth 1 at 0", 6);
        Checks.wrongTale(x, "thing 0001 worth 1 at 0", 6);
        Checks.wrongTale(x, "thing 1 worth 100 at 0", 14);
        Checks.wrongTale(x, "thing 1 worth 0 at 0", 14);
        Checks.wrongTale(x, "thing 1 worthy 1 at 0", 8);
        Checks.wrongTale(x, "thing 1 worth 1 0", 16);
        Checks.wrongTale(x, "thing 1 worth 1 at 2", 19);
        Checks.wrongTale(x, "thing 1 worth 1 at -1", 19);
        Checks.wrongTale(x, "thing 1 worth 1 at 0 takes", 21);
        Checks.wrongTale(x, "place;thing 1 worth 1 at 3", 25);
        Checks.wrongTale(x, "road 0 2 long 1", 7);
        Checks.wrongTale(x, "road 2 2 long 1", 5);
        Checks.wrongTale(x, "road 1 1 long 1", 7);
        Checks.wrongTale(x, "road 01 long 1", 8);
        Checks.wrongTale(x, "road 0 1 long 0", 14);
        Checks.wrongTale(x, "road 0 1 long 10", 14);
        Checks.wrongTale(x, "road 0 1 long 1 chance", 22);
        Checks.wrongTale(x, "road 0 1 long 1 chance 101", 23);
        Checks.wrongTale(x, "road 0 1 long 1 chance 0", 23);
        Checks.wrongTale(x, "road 0 1 long 1 chance 9 chance 9", 25);
        Checks.wrongTale(x, "keeper 2 lock 1 1", 7);
        Checks.wrongTale(x, "keeper 0 lock 1", 15);
        Checks.wrongTale(x, "keeper 0 lock 1 16", 16);
        Checks.wrongTale(x, "keeper 0 lock 1 1 eats", 22);
        Checks.wrongTale(x, "keeper 0 lock 1 1 eats 24 to 24", 23);
        Checks.wrongTale(x, "keeper 0 lock 1 1 eats 3 4", 25);
        Checks.wrongTale(x, "keeper 0 lock 1 1 eats 3 to 2", 28);
        Checks.wrongTale(x, "keeper 0 lock 1 1 eats 3 to 24", 28);
        Checks.wrongTale(x, "keeper 0 lock 1 1 takes eats 3 to 4", 24);
        Checks.wrongTale(x, "keeper 0 lock 1 1 has 1 worth 1 takes", 32);
        Checks.wrongTale(x, "keeper 0 lock 1 1 has 1", 23);
        Checks.wrongTale(x, "keeper 0 lock 1 1 has 1 worth 1 at 0", 32);
        Checks.wrongTale(x, "keeper 0 lock 1 1;keeper 0 lock", 25);
        Checks.wrongTale(x, "brother 2 lock 1 1 way 0 due 0", 8);
        Checks.wrongTale(x, "brother 0 lock 1 1 due 0", 19);
        Checks.wrongTale(x, "brother 0 lock 1 1 way 100 due 0", 23);
        Checks.wrongTale(x, "brother 0 lock 1 1 way 0 due 1000", 29);
        Checks.wrongTale(x, "brother 0 lock 1 1 way 0 due", 28);
        Checks.due("no text more", 1, x.count(5));
        Checks.rightTale(x, "place");
        Checks.wrongTale(x, "keeper", 6);
        Checks.rightTale(x, "");
    }

    private static void tooMany() {
        GlassHill x = new GlassHill();
        Checks.rightTale(x, "place;place;place;place;place;place;place;place;place;place");
        Checks.wrongTale(x, "  place", 2);
        Checks.rightTale(x, Checks.times("thing 1 worth 1 at 9", 9));
        Checks.wrongTale(x, "thing 1 worth 1 at 9;thing 1 worth", 21);
        Checks.wrongTale(x, "keeper 0 lock 1 1 has 1 worth 1;keeper 1 lock 1 1 takes has 1 worth 1", 56);
        Checks.rightTale(x, "keeper 0 lock 1 1 has 1 worth 1");
        Checks.wrongTale(x, "keeper 1 lock 1 1 has 99", 18);
        Checks.wrongTale(x, "thing", 0);
        Checks.rightTale(x, Checks.times("road 0 1 long 1", 14));
        Checks.rightTale(x, Checks.times("road 0 1 long 1", 2));
        Checks.wrongTale(x, "road 0 1 long 1", 0);
        Checks.rightTale(x, Checks.times("brother 0 lock 0 0 way 0 due 0", 7));
        Checks.wrongTale(x, "brother 0 lock 0 0 way 0 due 0", 0);
        Checks.wrongTale(x, Checks.times("keeper 0", 1), 7);
        Checks.due("ten of each", 10, x.count(0));
        Checks.due("things", 10, x.count(1));
        Checks.due("roads", 16, x.count(2));
        Checks.due("brothers", 7, x.count(3));
        GlassHill y = Checks.told("place;place");
        Checks.rightTale(y, Checks.times("road 0 1 long 1", 14));
        Checks.wrongTale(y, Checks.times("place", 8) + ";" + Checks.times("thing 0 worth 1 at 0", 7), 48 + 6 * 21);
        Checks.wrongTale(y, Checks.times("place", 8) + ";" + Checks.times("thing 0 worth 1 at 0", 6) + ";", 48 + 6 * 21);
        Checks.wrongTale(y, Checks.times("place", 8) + ";" + Checks.times("thing 0 worth 1 at 0", 6) + "; ;", 49 + 6 * 21);
        Checks.rightTale(y, Checks.times("place", 8) + ";" + Checks.times("thing 0 worth 1 at 0", 6));
    }

    private static void nothingStays() {
        GlassHill x = Checks.told("place;thing 1 worth 2 at 0");
        Checks.wrongTale(x, "place;road 0 1 long 3;keeper 1 lock 1 1 has 4 worth 5;brother 1 lock 1 1 way 1 due 1;"
            + "thing 3 worth 3 at 0;keeper 0 lock 3 3 eats 0 to 23 takes;x", 143);
        int[] counts = {1, 1, 0, 0, 0, 1, -1, 0};
        for (int what = 0; what < counts.length; what++) {
            Checks.due("count(" + what + ") behind a wrong text", counts[what], x.count(what));
        }
        Checks.due("things at 0", 1, x.place(0, 8));
        Checks.due("keeper at 0", 0, x.place(0, 0));
        Checks.rightTale(x, "place;keeper 1 lock 2 2");
        Checks.due("has nothing", -1, x.place(1, 6));
        Checks.due("takes nothing", 0, x.place(1, 5));
        Checks.rightTale(x, "keeper 0 lock 3 3");
        Checks.due("eats never", -1, x.place(0, 3));
        Checks.due("eats never", -1, x.place(0, 4));
        Checks.due("sees alone", 0, x.place(0, 5));
    }

    private static void twelveTexts() {
        GlassHill x = new GlassHill();
        for (int i = 1; i <= 12; i++) {
            Checks.due("text " + i, i, Checks.tale(x, i == 1 ? "place" : ""));
        }
        Checks.tape(x, "place;plaice");
        Checks.illegalArgument("a wrong 13th text", x::tale);
        Checks.due("fault of the wrong 13th", 6, x.fault());
        Checks.tape(x, "place");
        Checks.unsupported("a right 13th text", x::tale);
        Checks.due("fault of the right 13th", -1, x.fault());
        Checks.due("the tape is used up", 20, x.feed(0, 0, 0, 0, 0));
        Checks.due("places", 1, x.count(0));
        Checks.due("texts", 12, x.count(5));
    }

    private static void whatWasTold() {
        GlassHill x = Checks.told("place;place;place;thing 3 worth 7 at 2;keeper 1 lock 6 2 eats 4 to 9 takes has 11 worth 8",
            "keeper 2 lock 9 15;thing 12 worth 99 at 2;road 2 0 long 4;road 0 1 long 9 chance 7;brother 2 lock 5 4 way 31 due 123");
        due(x, "place 0", 0, new int[] {0, 0, 0, -1, -1, 0, -1, 0, 0});
        due(x, "place 1", 1, new int[] {1, 6, 2, 4, 9, 1, 1, 0, 0});
        due(x, "place 2", 2, new int[] {1, 9, 15, -1, -1, 0, -1, 0, 5});
        int[][] things = {{3, 7, 0, 2}, {11, 8, 1, 1}, {12, 99, 0, 2}};
        for (int t = 0; t < 3; t++) {
            for (int what = 0; what < 4; what++) {
                Checks.due("thing(" + t + ", " + what + ")", things[t][what], x.thing(t, what));
            }
        }
        int[][] roads = {{2, 0, 4, 100}, {0, 1, 9, 7}};
        for (int r = 0; r < 2; r++) {
            for (int what = 0; what < 4; what++) {
                Checks.due("road(" + r + ", " + what + ")", roads[r][what], x.road(r, what));
            }
        }
        int[] brother = {2, 5, 4, 31, 123, -1, -1};
        for (int what = 0; what < 7; what++) {
            Checks.due("brother(0, " + what + ")", brother[what], x.brother(0, what));
        }
        int[] girl = {0, 0, -1, 0, 0};
        for (int what = 0; what < 5; what++) {
            Checks.due("girl(" + what + ")", girl[what], x.girl(what));
        }
    }

    private static void due(GlassHill x, String name, int place, int[] want) {
        for (int what = 0; what < want.length; what++) {
            Checks.due(name + " what " + what, want[what], x.place(place, what));
        }
    }

    private static void wrongAsked() {
        GlassHill x = Checks.told("place;place;thing 3 worth 7 at 1;road 0 1 long 4;brother 1 lock 5 4 way 31 due 123");
        for (int bad : new int[] {-1, 2, 10, Integer.MIN_VALUE, Integer.MAX_VALUE}) {
            Checks.outOfBounds("place(" + bad + ")", () -> x.place(bad, 99));
            Checks.outOfBounds("reached(" + bad + ")", () -> x.reached(bad));
            Checks.outOfBounds("thing(" + bad + ")", () -> x.thing(bad, 99));
            Checks.outOfBounds("road(" + bad + ")", () -> x.road(bad, 99));
            Checks.outOfBounds("brother(" + bad + ")", () -> x.brother(bad, 99));
        }
        Checks.outOfBounds("thing(1)", () -> x.thing(1, 0));
        Checks.outOfBounds("road(1)", () -> x.road(1, 0));
        Checks.outOfBounds("brother(1)", () -> x.brother(1, 0));
        for (int bad : new int[] {-1, 99, Integer.MIN_VALUE, Integer.MAX_VALUE}) {
            Checks.noSuchElement("place what " + bad, () -> x.place(0, bad));
            Checks.noSuchElement("thing what " + bad, () -> x.thing(0, bad));
            Checks.noSuchElement("road what " + bad, () -> x.road(0, bad));
            Checks.noSuchElement("brother what " + bad, () -> x.brother(0, bad));
            Checks.noSuchElement("girl what " + bad, () -> x.girl(bad));
        }
        Checks.noSuchElement("place what 9", () -> x.place(0, 9));
        Checks.noSuchElement("thing what 4", () -> x.thing(0, 4));
        Checks.noSuchElement("road what 4", () -> x.road(0, 4));
        Checks.noSuchElement("brother what 7", () -> x.brother(0, 7));
        Checks.noSuchElement("girl what 5", () -> x.girl(5));
    }

    private static void fits() {
        GlassHill x = Checks.told("place;place;place;place;keeper 0 lock 0 0;keeper 1 lock 5 4;keeper 2 lock 5 6;"
            + "thing 4 worth 1 at 0;thing 14 worth 1 at 0;thing 5 worth 1 at 0");
        boolean[][] want = {{true, true, false}, {true, true, false}, {true, false, false}};
        for (int t = 0; t < 3; t++) {
            for (int p = 0; p < 3; p++) {
                Checks.due("fits(" + t + ", " + p + ")", want[t][p], x.fits(t, p));
            }
        }
        Checks.illegalState("fits(0, 3)", () -> x.fits(0, 3) ? 1 : 0);
        Checks.outOfBounds("fits(3, 3)", () -> x.fits(3, 3) ? 1 : 0);
        Checks.outOfBounds("fits(0, 4)", () -> x.fits(0, 4) ? 1 : 0);
        Checks.outOfBounds("fits(-1, 0)", () -> x.fits(-1, 0) ? 1 : 0);
        Checks.outOfBounds("fits(0, -1)", () -> x.fits(0, -1) ? 1 : 0);
    }
}
