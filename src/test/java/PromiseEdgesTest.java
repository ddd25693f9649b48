/** The boundaries that the promises 1 to 13 name, on the side where the call is taken (RefusalsTest has the other). */
public final class PromiseEdgesTest {
    public static void main(String[] args) {
        promise1ANewHouseHasNothing();
        promise1HousesAreApart();
        promise2PassTakesTheEdges();
        promise2PassWhenTheDayIsOver();
        promise3SetLightTellsWhatWasBefore();
        promise3SetLightOfThePresentAndOtherHours();
        promise4AddRoomTakesTheEdges();
        promise5BoreTakesTheEdges();
        promise6PaintTakesTheEdges();
        promise7SeatUpToTheLastSeat();
        promise8PasserInAFullHouse();
        promise9RoomInAFullHouse();
        promise10WallToItsEnds();
        promise11BrightAtItsGreatestAndLeast();
        promise12CountOfAFullHouse();
        promise13GoAsFarAsTheDayGoes();
        promise13GoInOneOrInPieces();
        anObjectIsUsedFor512Calls();
        Check.end();
    }

    /** "Creates a house without rooms, in the minute 0." */
    private static void promise1ANewHouseHasNothing() {
        PinholeHouse house = new PinholeHouse();
        expectCounts(house, 0, 50, 0, 0, 0, 0, 0, 0, 0);
        Check.due(0.0, house.mean());
        for (int minutes : new int[] {1, 720}) {
            for (int what = 0; what < 3; what++) {
                Check.due(0, house.foresee(minutes, what));
            }
        }
        Check.thrown(Check.INDEX, house, () -> house.bore(0, 1));
        Check.thrown(Check.INDEX, house, () -> house.paint(0, 0));
        Check.thrown(Check.INDEX, house, () -> house.seat(0, 1));
        Check.thrown(Check.INDEX, house, () -> house.passer(0, 0));
        Check.thrown(Check.INDEX, house, () -> house.room(0, 0));
        Check.thrown(Check.INDEX, house, () -> house.wall(0, 0));
        Check.thrown(Check.INDEX, house, () -> house.bright(0, 0));
        Check.thrown(Check.INDEX, house, () -> house.when(0));
        Check.thrown(Check.INDEX, house, () -> house.advise(0, 1));
        Check.thrown(Check.INDEX, house, () -> house.seen(0));
        Check.due(0, house.go(719));
        Check.due(0, house.go(1));
        expectCounts(house, 720, 0, 0, 0, 0, 0, 0, 0, 1);
        Check.due(0.0, house.mean());
    }

    private static void promise1HousesAreApart() {
        PinholeHouse house = Houses.FULL.make();
        house.setLight(0, 1, 1);
        PinholeHouse other = new PinholeHouse();
        expectCounts(other, 0, 50, 0, 0, 0, 0, 0, 0, 0);
        Check.due(0, other.addRoom(0, 1, 0));
        Check.due(0, other.pass(0, 0, 1, 1));
        long before = house.digest();
        other.go(720);
        Check.due(before, house.digest());
    }

    /** "if step is not 0 to 59, pace is not -3 to 3, or tall or bright is not 1 to 9" */
    private static void promise2PassTakesTheEdges() {
        for (int step : new int[] {0, 59}) {
            for (int pace : new int[] {-3, 3}) {
                PinholeHouse house = new PinholeHouse();
                int number = 0;
                for (int tall : new int[] {1, 9}) {
                    for (int bright : new int[] {1, 9}) {
                        Check.due(number, house.pass(step, pace, tall, bright));
                        expectPasser(house, number, step, pace, tall, bright, 0);
                        number++;
                    }
                }
            }
        }
    }

    private static void promise2PassWhenTheDayIsOver() {
        PinholeHouse house = new PinholeHouse();
        house.go(720);
        for (int number = 0; number < 10; number++) {
            Check.due(number, house.pass(59, 3, 9, 9));
        }
        house.go(720);
        expectPasser(house, 9, 59, 3, 9, 9, 0);
        Check.due(0, house.count(3));
    }

    /** "Returns 10 * light + clouds, as they were before." */
    private static void promise3SetLightTellsWhatWasBefore() {
        PinholeHouse house = new PinholeHouse();
        int[][] entries = {{0, 0}, {100, 9}, {0, 9}, {100, 0}, {100, 0}, {1, 1}};
        for (int hour = 0; hour < 12; hour++) {
            int before = 500;
            for (int[] entry : entries) {
                Check.due("hour " + hour, before, house.setLight(hour, entry[0], entry[1]));
                before = 10 * entry[0] + entry[1];
            }
            if (hour < 11) {
                Check.due("hour behind " + hour, 500, house.setLight(hour + 1, 50, 0));
            }
        }
        for (int hour = 0; hour < 12; hour++) {
            Check.due("hour " + hour, 11, house.setLight(hour, 1, 1));
        }
    }

    private static void promise3SetLightOfThePresentAndOtherHours() {
        PinholeHouse house = new PinholeHouse();
        house.go(119);
        house.setLight(0, 10, 0);
        house.setLight(2, 20, 0);
        Check.due(50, house.count(1));
        house.setLight(1, 100, 9);
        Check.due(10, house.count(1));
        house.setLight(1, 0, 0);
        Check.due(0, house.count(1));
        house.go(1);
        Check.due(20, house.count(1));
    }

    /** "if step is not 0 to 59, depth is not 1 to 9, or seats is not 0 to 20" */
    private static void promise4AddRoomTakesTheEdges() {
        for (int depth : new int[] {1, 9}) {
            for (int seats : new int[] {0, 20}) {
                PinholeHouse house = new PinholeHouse();
                Check.due(0, house.addRoom(59, depth, seats));
                Check.due(1, house.addRoom(0, depth, seats));
                expectRoom(house, 0, 59, depth, 3, 0, seats, 0, 0, 0);
                expectRoom(house, 1, 0, depth, 3, 0, seats, 0, 0, 0);
            }
        }
        PinholeHouse late = new PinholeHouse();
        late.go(720);
        Check.due(0, late.addRoom(30, 1, 20));
        Check.due(20, late.seat(0, 20));
    }

    /** "if there is no such room"; "if hole is not 1 to 9" */
    private static void promise5BoreTakesTheEdges() {
        PinholeHouse house = eightRooms();
        for (int room = 0; room < 8; room++) {
            Check.due(3, house.bore(room, 1));
            Check.due(1, house.bore(room, 9));
            Check.due(9, house.bore(room, 9));
            Check.due(9, house.bore(room, 1 + room));
        }
        for (int room = 0; room < 8; room++) {
            expectRoom(house, room, 7 * room, 1 + room, 1 + room, 0, 20, 0, 0, 0);
        }
        Check.thrown(Check.INDEX, house, () -> house.bore(8, 1));
        Check.thrown(Check.INDEX, house, () -> house.bore(8, 0));
        Check.thrown(Check.ARGUMENT, house, () -> house.bore(7, 0));
        Check.thrown(Check.ARGUMENT, house, () -> house.bore(7, 10));
    }

    /** "if there is no such room"; "if paint is not 0 to 9" */
    private static void promise6PaintTakesTheEdges() {
        PinholeHouse house = eightRooms();
        for (int room = 0; room < 8; room++) {
            Check.due(0, house.paint(room, 9));
            Check.due(9, house.paint(room, 0));
            Check.due(0, house.paint(room, 0));
            Check.due(0, house.paint(room, 1 + room));
        }
        for (int room = 0; room < 8; room++) {
            expectRoom(house, room, 7 * room, 1 + room, 3, 1 + room, 20, 0, 0, 0);
        }
        Check.thrown(Check.INDEX, house, () -> house.paint(8, 0));
        Check.thrown(Check.INDEX, house, () -> house.paint(8, 10));
        Check.thrown(Check.ARGUMENT, house, () -> house.paint(7, -1));
        Check.thrown(Check.ARGUMENT, house, () -> house.paint(7, 10));
    }

    /** "if people is not 1 to 20"; "if there are not so many seats free" */
    private static void promise7SeatUpToTheLastSeat() {
        for (int seats = 0; seats <= 20; seats++) {
            for (int people = 0; people <= seats; people++) {
                PinholeHouse house = new PinholeHouse();
                house.addRoom(0, 1, seats);
                if (people > 0) {
                    Check.due(people, house.seat(0, people));
                }
                int free = seats - people;
                if (free < 20) {
                    Check.thrown(Check.STATE, house, () -> house.seat(0, free + 1));
                    Check.thrown(Check.STATE, house, () -> house.seat(0, 20));
                }
                Check.thrown(Check.ARGUMENT, house, () -> house.seat(0, 0));
                Check.thrown(Check.ARGUMENT, house, () -> house.seat(0, 21));
                if (free > 0) {
                    Check.due(seats, house.seat(0, free));
                }
                Check.due(seats, house.room(0, 5));
                Check.thrown(Check.STATE, house, () -> house.seat(0, 1));
            }
        }
    }

    /** "if there is no such passer-by, or what is not 0 to 4"; "0 the step, -1 if this one is gone" */
    private static void promise8PasserInAFullHouse() {
        PinholeHouse house = eightRooms();
        for (int i = 0; i < 8; i++) {
            house.pass(28, 0, 1 + i, 1 + i);
        }
        house.pass(0, -1, 9, 9);
        house.pass(59, 1, 9, 9);
        house.setLight(0, 100, 0);
        // The rooms 3 to 7 reach the step 28, with blurs of 4 to 8; 0 and 1 reach the step 0, and 5 to 7 the step 59.
        int[] well = {0, 0, 0, 1, 2, 3, 4, 5};
        for (int i = 0; i < 8; i++) {
            expectPasser(house, i, 28, 0, 1 + i, 1 + i, well[i]);
        }
        expectPasser(house, 8, 0, -1, 9, 9, 2);
        expectPasser(house, 9, 59, 1, 9, 9, 3);
        Check.thrown(Check.INDEX, house, () -> house.passer(10, 0));
        Check.thrown(Check.INDEX, house, () -> house.passer(9, 5));
        house.go(1);
        expectPasser(house, 8, -1, -1, 9, 9, 0);
        expectPasser(house, 9, -1, 1, 9, 9, 0);
        house.go(719);
        expectPasser(house, 7, 28, 0, 8, 8, 0);
        PinholeHouse deep = new PinholeHouse();
        deep.pass(28, 0, 9, 9);
        for (int room = 0; room < 8; room++) {
            Check.due(room, deep.passer(0, 4));
            deep.addRoom(8 * room, 9, 0);
        }
        Check.due(8, deep.passer(0, 4));
        deep.setLight(0, 0, 0);
        Check.due(0, deep.passer(0, 4));
    }

    /** "if there is no such room, or what is not 0 to 7" */
    private static void promise9RoomInAFullHouse() {
        PinholeHouse house = new PinholeHouse();
        for (int room = 0; room < 8; room++) {
            house.addRoom(8 * room, 9, 20);
            house.seat(room, 20);
        }
        for (int i = 0; i < 10; i++) {
            Check.due(i, house.room(7, 6));
            house.pass(28, 0, 9, 9);
        }
        for (int room = 0; room < 8; room++) {
            expectRoom(house, room, 8 * room, 9, 3, 0, 20, 20, 10, 0);
        }
        house.go(719);
        expectRoom(house, 0, 0, 9, 3, 0, 20, 20, 10, 719 * 40);
        house.go(1);
        for (int room = 0; room < 8; room++) {
            expectRoom(house, room, 8 * room, 9, 3, 0, 20, 20, 0, 720 * 40);
        }
        Check.thrown(Check.INDEX, house, () -> house.room(8, 0));
        Check.thrown(Check.INDEX, house, () -> house.room(7, 8));
    }

    /** "place is not -4 * depth to 4 * depth"; "(seen well or not)" */
    private static void promise10WallToItsEnds() {
        for (int depth = 1; depth <= 5; depth++) {
            PinholeHouse house = new PinholeHouse();
            int end = 4 * depth;
            house.addRoom(30, depth, 0);
            for (int i = 0; i < 10; i++) {
                house.pass(i < 4 ? 30 - end : i < 9 ? 30 + end : 30, 0, 1, 1);
            }
            for (int light : new int[] {100, 0}) {
                house.setLight(0, light, 0);
                expectWallEnds(house, end);
            }
            house.go(720);
            expectWallEnds(house, end);
        }
        PinholeHouse crowd = new PinholeHouse();
        crowd.addRoom(4, 1, 0);
        for (int i = 0; i < 10; i++) {
            Check.due(i, crowd.wall(0, 4));
            crowd.pass(0, -1, 1, 1);
        }
        Check.due(10, crowd.wall(0, 4));
        crowd.go(1);
        Check.due(0, crowd.wall(0, 4));
    }

    private static void expectWallEnds(PinholeHouse house, int end) {
        Check.due(4, house.wall(0, end));
        Check.due(5, house.wall(0, -end));
        Check.due(1, house.wall(0, 0));
        Check.due(0, house.wall(0, end - 1));
        Check.due(0, house.wall(0, 1 - end));
        Check.thrown(Check.INDEX, house, () -> house.wall(0, end + 1));
        Check.thrown(Check.INDEX, house, () -> house.wall(0, -end - 1));
    }

    /** "-1 if this one is not shown there" */
    private static void promise11BrightAtItsGreatestAndLeast() {
        PinholeHouse house = new PinholeHouse();
        house.addRoom(30, 1, 0);
        house.addRoom(34, 9, 0);
        int[] steps = {26, 34, 25, 35};
        for (int step : steps) {
            house.pass(step, 0, 9, 9);
        }
        house.setLight(0, 100, 0);
        house.bore(0, 9);
        int[] greatest = {7290, 7290, -1, -1};
        for (int passer = 0; passer < steps.length; passer++) {
            Check.due(greatest[passer], house.bright(0, passer));
            Check.due(10, house.bright(1, passer));
        }
        house.setLight(0, 0, 0);
        int[] least = {0, 0, -1, -1};
        for (int passer = 0; passer < steps.length; passer++) {
            Check.due(least[passer], house.bright(0, passer));
        }
        house.setLight(0, 100, 0);
        house.setLight(11, 100, 0);
        house.go(719);
        Check.due(7290, house.bright(0, 0));
        house.go(1);
        for (int passer = 0; passer < steps.length; passer++) {
            Check.due(least[passer], house.bright(0, passer));
        }
        Check.thrown(Check.INDEX, house, () -> house.bright(2, 0));
        Check.thrown(Check.INDEX, house, () -> house.bright(0, 4));
    }

    /** "8 1 if the day is over, else 0"; the sums over all that there is room for */
    private static void promise12CountOfAFullHouse() {
        PinholeHouse house = new PinholeHouse();
        for (int room = 0; room < 8; room++) {
            house.addRoom(8 * room, 9, 20);
            house.seat(room, 20);
        }
        for (int i = 0; i < 10; i++) {
            house.pass(28 + i % 2, 0, 9, 9);
        }
        expectCounts(house, 0, 50, 10, 0, 8, 160, 80, 0, 0);
        house.go(719);
        expectCounts(house, 719, 50, 10, 0, 8, 160, 80, 719 * 320, 0);
        house.go(1);
        expectCounts(house, 720, 0, 10, 0, 8, 160, 0, 720 * 320, 1);
        Check.due(320.0, house.mean());
        PinholeHouse left = new PinholeHouse();
        for (int i = 0; i < 10; i++) {
            left.pass(59, 1, 9, 9);
        }
        Check.due(0, left.count(3));
        left.go(1);
        expectCounts(left, 1, 50, 10, 10, 0, 0, 0, 0, 0);
        Check.due(0, left.foresee(1, 2));
    }

    /** "Lets minutes go by, as far as the day goes." */
    private static void promise13GoAsFarAsTheDayGoes() {
        for (int begun : new int[] {1, 2, 360, 718, 719}) {
            for (int minutes : new int[] {720 - begun - 1, 720 - begun, 720 - begun + 1, 720}) {
                if (minutes > 0) {
                    PinholeHouse house = onePayer();
                    Check.due(begun, house.go(begun));
                    int gone = Math.min(minutes, 720 - begun);
                    Check.due(begun + " and " + minutes, gone, house.go(minutes));
                    Check.due(begun + " and " + minutes, begun + gone, house.count(0));
                    Check.due(begun + " and " + minutes, begun + gone, house.count(7));
                }
            }
        }
        PinholeHouse whole = onePayer();
        Check.due(720, whole.go(720));
        long before = whole.digest();
        Check.due(0, whole.go(1));
        Check.due(0, whole.go(720));
        Check.due(before, whole.digest());
        Check.thrown(Check.ARGUMENT, whole, () -> whole.go(0));
        Check.thrown(Check.ARGUMENT, whole, () -> whole.go(721));
    }

    private static void promise13GoInOneOrInPieces() {
        PinholeHouse whole = Houses.FULL.make();
        PinholeHouse pieces = Houses.FULL.make();
        int paid = whole.go(717);
        for (int minutes = 1; minutes <= 37; minutes++) {
            paid -= pieces.go(minutes);
        }
        paid -= pieces.go(14);
        Check.due(0, paid);
        Check.due(720, pieces.count(0));
        Check.due(whole.digest(), pieces.digest());
    }

    /** "An object is used for at most 512 calls after it has been made" */
    private static void anObjectIsUsedFor512Calls() {
        PinholeHouse house = Houses.NEW.make();
        PinholeHouse twin = Houses.NEW.make();
        house.addRoom(30, 3, 1);
        twin.addRoom(30, 3, 1);
        for (int call = 2; call <= 510; call++) {
            Check.due("call " + call, call == 2 ? 3 : (call - 1) % 9 + 1, house.bore(0, call % 9 + 1));
        }
        Check.due(510 % 9 + 1, house.bore(0, 3));
        Check.due(twin.digest(), house.digest());
    }

    private static PinholeHouse eightRooms() {
        PinholeHouse house = new PinholeHouse();
        for (int room = 0; room < 8; room++) {
            house.addRoom(7 * room, 1 + room, 20);
        }
        return house;
    }

    /** One of the people, who pays a penny in each minute of the day. */
    private static PinholeHouse onePayer() {
        PinholeHouse house = new PinholeHouse();
        house.addRoom(30, 3, 1);
        house.pass(30, 0, 9, 9);
        house.seat(0, 1);
        return house;
    }

    private static void expectCounts(PinholeHouse house, long... counts) {
        for (int what = 0; what < counts.length; what++) {
            Check.due("count " + what, counts[what], house.count(what));
        }
    }

    private static void expectPasser(PinholeHouse house, int passer, long... facts) {
        for (int what = 0; what < facts.length; what++) {
            Check.due("passer " + passer + ", " + what, facts[what], house.passer(passer, what));
        }
    }

    private static void expectRoom(PinholeHouse house, int room, long... facts) {
        for (int what = 0; what < facts.length; what++) {
            Check.due("room " + room + ", " + what, facts[what], house.room(room, what));
        }
    }
}
