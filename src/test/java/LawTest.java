/** Promises 5, 6 and 12: a law, where it is wrong, and what it says of a road. */
public final class LawTest {
    public static void main(String[] args) {
        rightAndWrong();
        depth();
        barsAndSlows();
        terms();
        joins();
        places();
        Checks.finish("LawTest");
    }

    private static void rightAndWrong() {
        GlassHill x = new GlassHill();
        Checks.due("no law", -1, x.count(6));
        Checks.wrongLaw(x, "bars", 0);
        Checks.due("still no law", -1, x.count(6));
        Checks.rightLaw(x, "   ", 0);
        Checks.rightLaw(x, "bar", 1);
        Checks.rightLaw(x, " bar ; slow 9 ;slow0if night;bar if(night)", 4);
        Checks.wrongLaw(x, ";", 0);
        Checks.wrongLaw(x, "bar;", 4);
        Checks.wrongLaw(x, "bar;;bar", 4);
        Checks.wrongLaw(x, "bar bar", 4);
        Checks.wrongLaw(x, "slow if night", 5);
        Checks.wrongLaw(x, "slow 10", 5);
        Checks.wrongLaw(x, "slow 1 1", 7);
        Checks.wrongLaw(x, "slow 0009", 5);
        Checks.rightLaw(x, "slow 009", 1);
        Checks.wrongLaw(x, "bar night", 4);
        Checks.wrongLaw(x, "bar if", 6);
        Checks.wrongLaw(x, "bar if ;bar", 7);
        Checks.wrongLaw(x, "bar if nights", 7);
        Checks.wrongLaw(x, "bar if night night", 13);
        Checks.wrongLaw(x, "bar if night < 3", 13);
        Checks.wrongLaw(x, "bar if 3 < night", 11);
        Checks.wrongLaw(x, "bar if hour", 11);
        Checks.wrongLaw(x, "bar if hour hour", 12);
        Checks.wrongLaw(x, "bar if 1 2", 9);
        Checks.wrongLaw(x, "bar if hour <", 13);
        Checks.wrongLaw(x, "bar if hour = 3", 12);
        Checks.wrongLaw(x, "bar if hour + < 3", 14);
        Checks.wrongLaw(x, "bar if hour < 1000", 14);
        Checks.rightLaw(x, "bar if hour<999", 1);
        Checks.wrongLaw(x, "bar if 1 < 2 < 3", 13);
        Checks.wrongLaw(x, "bar if hour and night", 12);
        Checks.wrongLaw(x, "bar if 1 < 2 and", 16);
        Checks.wrongLaw(x, "bar if 1 < 2 or or", 16);
        Checks.wrongLaw(x, "bar if night)", 12);
        Checks.wrongLaw(x, "bar if (night;bar", 13);
        Checks.wrongLaw(x, "bar if (1) < 2", 9);
        Checks.wrongLaw(x, "bar if ()", 8);
        Checks.wrongLaw(x, "bar if not", 10);
        Checks.wrongLaw(x, "bar if chance < 3", 7);
        Checks.wrongLaw(x, "bar if night\u0000", 12);
        Checks.due("the law ahead of the wrong ones", 1, x.count(6));
        Checks.rightLaw(x, "bar;bar;bar;bar;bar;bar;bar;bar;bar;bar;bar;slow 1", 12);
        Checks.wrongLaw(x, "bar;bar;bar;bar;bar;bar;bar;bar;bar;bar;bar;bar;  bar", 50);
        Checks.wrongLaw(x, "bar;bar;bar;bar;bar;bar;bar;bar;bar;bar;bar;bar;", 48);
        Checks.wrongLaw(x, "bar;bar;bar;bar;bar;bar;bar;bar;bar;bar;bar;bar;5", 48);
        Checks.due("twelve", 12, x.count(6));
        Checks.rightLaw(x, "", 0);
        Checks.tape(x, "bar");
        x.law();
        Checks.due("the tape is used up", 20, x.feed(0, 0, 0, 0, 0));
    }

    private static void depth() {
        GlassHill x = new GlassHill();
        Checks.rightLaw(x, "bar if ((((((night))))))", 1);
        Checks.wrongLaw(x, "bar if (((((((night)))))))", 13);
        Checks.rightLaw(x, "bar if not not not not not not night", 1);
        Checks.wrongLaw(x, "bar if not not not not not not not night", 31);
        Checks.rightLaw(x, "bar if not(not(not(night)))", 1);
        Checks.wrongLaw(x, "bar if not(not(not( not night)))", 20);
        Checks.wrongLaw(x, "bar if not(not(not((night))))", 19);
        Checks.rightLaw(x, "bar if ((((((night)))))) and not not not not not not 1<2 or (night)", 1);
        Checks.rightLaw(x, "bar if not not not not not not night or not night", 1);
    }

    private static GlassHill two() {
        return Checks.told("place;place;place;road 0 1 long 4;road 1 0 long 2;road 1 2 long 1;thing 1 worth 30 at 0;"
            + "thing 2 worth 12 at 0");
    }

    private static void barsAndSlows() {
        GlassHill x = two();
        Checks.law(x, "slow 3;slow 2 if night;slow 9 if not night;slow 1");
        rule(x, 0, 0, 10, 1);
        rule(x, 1, 0, 8, 1);
        Checks.illegalState("rule(2, 0)", () -> x.rule(2, 0));
        Checks.illegalState("rule(2, 9)", () -> x.rule(2, 9));
        Checks.outOfBounds("rule(3, 9)", () -> x.rule(3, 9));
        Checks.outOfBounds("rule(-1, 0)", () -> x.rule(-1, 0));
        Checks.noSuchElement("rule(0, 3)", () -> x.rule(0, 3));
        Checks.noSuchElement("rule(0, -1)", () -> x.rule(0, -1));
        Checks.due("go", 10, x.go(0));
        rule(x, 1, 0, 15, 1);
        rule(x, 2, 0, 14, 1);
        Checks.law(x, "slow 3;bar if road > 0 and road < 2");
        rule(x, 1, 1, 5, 0);
        rule(x, 2, 0, 4, 1);
        Checks.illegalState("go(1)", () -> x.go(1));
        Checks.law(x, "bar");
        rule(x, 0, 1, 4, 0);
        Checks.law(x, "");
        rule(x, 0, 0, 4, 1);
        Checks.law(x, "slow 9;slow 9;slow 9;slow 9;slow 9;slow 9;slow 9;slow 9;slow 9;slow 9;slow 9;slow 9");
        Checks.due("the slowest", 10 + 2 + 108, x.go(1));
    }

    private static void rule(GlassHill x, int road, int barred, int hours, int goes) {
        Checks.due("rule(" + road + ", 0)", barred, x.rule(road, 0));
        Checks.due("rule(" + road + ", 1)", hours, x.rule(road, 1));
        Checks.due("rule(" + road + ", 2)", goes, x.rule(road, 2));
    }

    /** How many hours more the first road takes from where she is, by a condition. */
    private static void holds(GlassHill x, String condition, boolean want) {
        Checks.law(x, "slow 5 if " + condition);
        Checks.due(condition, want ? 9 : 4, x.rule(0, 1));
    }

    private static void terms() {
        GlassHill x = two();
        int[] nights = {0, 5, 6, 19, 20, 23};
        for (int hour : nights) {
            while (x.girl(1) % 24 != hour) {
                x.delay(1);
            }
            holds(x, "night", hour < 6 || hour > 19);
            holds(x, "hour < " + (hour + 1), true);
            holds(x, "hour > " + hour, false);
            holds(x, "day > 0", false);
        }
        x.delay(48);
        holds(x, "hour + 0 < 24 and hour > 22", true);
        holds(x, "day > 1 and day < 3", true);
        holds(x, "carried + worth > 0", false);
        x.take(0);
        holds(x, "carried > 0 and carried < 2", true);
        holds(x, "worth > 29 and worth < 31", true);
        x.take(1);
        holds(x, "carried > 1 and carried < 3 and worth > 41 and worth < 43", true);
        x.lay(0);
        holds(x, "carried > 1 or worth > 12", false);
        holds(x, "from < 1 and to > 0 and to < 2 and road < 1", true);
        Checks.law(x, "");
        x.go(0);
        holds(x, "to < 1 and from > 0 and from < 2", true);
    }

    private static void joins() {
        GlassHill x = two();
        holds(x, "1 < 2 or 1 < 2 and 2 < 1", true);
        holds(x, "2 < 1 and 1 < 2 or 1 < 2", true);
        holds(x, "2 < 1 and (1 < 2 or 1 < 2)", false);
        holds(x, "not 2 < 1 and 2 < 1", false);
        holds(x, "not (2 < 1 and 2 < 1)", true);
        holds(x, "not 1 < 2 or 1 < 2", true);
        holds(x, "1 + 2 + 3 > 5", true);
        holds(x, "1 + 2 + 3 > 6", false);
        holds(x, "6 < 1 + 2 + 3 + 1", true);
        holds(x, "6 < 1 + 2 + 3", false);
        holds(x, "7 > 7 or 7 < 7", false);
        holds(x, "((((((1 < 2 and 3 > 2 or 5 < 4)))))) and not not not not not not 1<2", true);
    }

    /** The hour is that in which she sets out. */
    private static void places() {
        GlassHill x = two();
        Checks.law(x, "bar if hour > 3");
        Checks.due("she sets out at 0", 4, x.go(0));
        Checks.illegalState("at 4", () -> x.go(0));
        Checks.due("waits", 20, x.delay(20));
        Checks.due("at 24", 28, x.go(0));
    }
}
