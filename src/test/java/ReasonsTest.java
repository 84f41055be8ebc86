import java.util.NoSuchElementException;

/** Promises 14 and 15: whyNot, whyNoTrip. */
public final class ReasonsTest {
    public static void main(String[] args) {
        promise14WhyNot();
        promise14TiredMule();
        promise15WhyNoTrip();
        promise15Cause();
        Check.end();
    }

    private static void promise14WhyNot() {
        MuleTrain t = new MuleTrain();
        Check.due("whyNot of iron on jen", t.whyNot(2, 0), 0);
        Check.due("whyNot of iron on moll", t.whyNot(2, 1), 2);
        Check.due("whyNot of what is on the mule", t.whyNot(0, 0), 1);
        Check.due("whyNot of what is on another, and too heavy", t.whyNot(0, 1), 1);
        t.addSack(0, 60, 1);
        t.addSack(0, 61, 1);
        Check.due("whyNot of all that jen bears", t.whyNot(5, 0), 0);
        Check.due("whyNot of 1 more", t.whyNot(6, 0), 2);
        t.trip();
        Check.due("whyNot of a delivered one", t.whyNot(0, 0), 1);
        MuleTrain lost = Check.loaded("train 9 0 0;mule a 10;sack iron 2 1;ford 9;pack 0 a left;trip");
        Check.due("PLACE of the lost one", lost.sack(0, 3), 3);
        Check.due("whyNot of a lost one", lost.whyNot(0, 0), 1);
        Check.thrown("whyNot(7, 0)", NoSuchElementException.class, () -> t.whyNot(7, 0));
        Check.thrown("whyNot(-1, 0)", NoSuchElementException.class, () -> t.whyNot(-1, 0));
        Check.thrown("whyNot(0, 2)", NoSuchElementException.class, () -> t.whyNot(0, 2));
        Check.thrown("whyNot(0, -1)", NoSuchElementException.class, () -> t.whyNot(0, -1));
        Check.thrown("whyNot(MOST, LEAST)", NoSuchElementException.class, () -> t.whyNot(Integer.MAX_VALUE, Integer.MIN_VALUE));
    }

    private static void promise14TiredMule() {
        // 50 miles make it tired by 5: of 59 it bears 59 * 95 / 100 = 56.
        MuleTrain t = Check.loaded("train 9 1 0;mule a 59;sack iron 1 1;sack iron 56 1;sack iron 57 1;road 50;pack 0 a left;trip");
        Check.due("what a tired mule bears", t.mule(0, 2), 56);
        Check.due("whyNot of 56", t.whyNot(1, 0), 0);
        Check.due("whyNot of 57", t.whyNot(2, 0), 2);
        t.rest(2);
        Check.due("whyNot of 57 behind 2 days of rest", t.whyNot(2, 0), 0);
    }

    private static void promise15WhyNoTrip() {
        MuleTrain t = new MuleTrain();
        Check.due("whyNoTrip(0)", t.whyNoTrip(0), 0);
        Check.due("whyNoTrip(1)", t.whyNoTrip(1), -1);
        t.set(0, 19);
        Check.due("whyNoTrip(0) with TILT 19", t.whyNoTrip(0), 2);
        Check.due("whyNoTrip(1) with TILT 19", t.whyNoTrip(1), 0);
        t.unpack(0);
        Check.due("whyNoTrip(1) as jen is level", t.whyNoTrip(1), 1);
        t.unpack(1);
        Check.due("whyNoTrip(0) as all are level", t.whyNoTrip(0), 0);
        t.set(0, 9);
        Check.due("whyNoTrip(1) as the right side is heavier", t.whyNoTrip(1), 0);
        t.unpack(3);
        Check.due("whyNoTrip(0) without sacks", t.whyNoTrip(0), 1);
        Check.due("whyNoTrip(1) without sacks", t.whyNoTrip(1), -1);
        t.set(0, 0);
        Check.due("whyNoTrip(0) without sacks, TILT 0", t.whyNoTrip(0), 1);
        Check.thrown("whyNoTrip(-1)", IllegalArgumentException.class, () -> t.whyNoTrip(-1));
        Check.thrown("whyNoTrip(2)", IllegalArgumentException.class, () -> t.whyNoTrip(2));
        Check.thrown("whyNoTrip(LEAST)", IllegalArgumentException.class, () -> t.whyNoTrip(Integer.MIN_VALUE));
        Check.thrown("whyNoTrip(MOST)", IllegalArgumentException.class, () -> t.whyNoTrip(Integer.MAX_VALUE));
        MuleTrain none = Check.loaded("train 0 0 0");
        Check.due("whyNoTrip(0) without mules", none.whyNoTrip(0), 1);
        Check.due("whyNoTrip(1) without mules", none.whyNoTrip(1), -1);
    }

    private static void promise15Cause() {
        MuleTrain t = Check.loaded("train 3 0 0;mule a 50;mule b 50;mule c 50;sack iron 4 1;sack iron 4 1;sack iron 1 1;pack 0 b left;pack 1 c right");
        Check.due("whyNoTrip(1) of two that are not level", t.whyNoTrip(1), 1);
        t.pack(2, 1, 1);
        Check.due("whyNoTrip(1) of the last mule", t.whyNoTrip(1), 2);
        t.set(0, 4);
        Check.due("whyNoTrip(0) with more TILT", t.whyNoTrip(0), 0);
        // DAY is not a reason why it cannot begin.
        for (int times = 0; times < 101; times++) {
            t.rest(99);
        }
        Check.due("whyNoTrip(0) on the last DAY", t.whyNoTrip(0), 0);
        Check.due("whyNoTrip(1) on the last DAY", t.whyNoTrip(1), -1);
    }
}
