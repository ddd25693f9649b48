/**
 * Promises 14 to 17 against 13: what is foretold of many houses is what comes about
 * when the same calls are made on another object and the minutes go by, one after the other.
 */
public final class ForetoldTest {
    private static final int DAY = 720;
    // An object is used for at most 512 calls, so that a day is looked at in pieces, each with a house of its own.
    private static final int PIECE = 30;

    private long seed;

    private ForetoldTest(long seed) {
        this.seed = seed;
    }

    public static void main(String[] args) {
        for (int run = 1; run <= 150; run++) {
            new ForetoldTest(run).compare();
        }
        Check.end();
    }

    private int draw(int bound) {
        seed = seed * 6364136223846793005L + 1442695040888963407L;
        return (int) ((seed >>> 33) % bound);
    }

    private void compare() {
        long start = seed;
        PinholeHouse house = furnished(start);
        long before = house.digest();
        for (int room = 0; room < house.count(4); room++) {
            Check.due(whenComesAbout(start, room), house.when(room));
            int minutes = 1 + draw(200);
            Check.due(bestHole(start, room, minutes), house.advise(room, minutes));
        }
        for (int passer = 0; passer < house.count(2); passer++) {
            Check.due(wallsPassed(start, passer), house.seen(passer));
        }
        compareForeseen(house, start, 1 + draw(DAY));
        compareForeseen(house, start, 1 + draw(20));
        Check.due(before, house.digest());
        compareSums(house);
    }

    /** The same house for the same start: rooms, lights and passers-by, some minutes, and more passers-by. */
    private PinholeHouse furnished(long start) {
        seed = start;
        PinholeHouse house = new PinholeHouse();
        for (int hour = 0; hour < 12; hour++) {
            house.setLight(hour, draw(101), draw(10));
        }
        int rooms = draw(9);
        for (int i = 0; i < rooms; i++) {
            furnishRoom(house, 7 * i + draw(7));
        }
        letSomePass(house, draw(6));
        house.go(1 + (draw(4) == 0 ? draw(DAY) : draw(30)));
        letSomePass(house, draw(6));
        return house;
    }

    private void furnishRoom(PinholeHouse house, int step) {
        int seats = 1 + draw(20);
        int room = house.addRoom(step, 1 + draw(9), seats);
        house.bore(room, 1 + draw(9));
        house.paint(room, draw(3) == 0 ? draw(10) : 0);
        house.seat(room, 1 + draw(seats));
    }

    private void letSomePass(PinholeHouse house, int passers) {
        for (int i = 0; i < passers; i++) {
            house.pass(draw(60), draw(7) - 3, 1 + draw(9), 1 + draw(9));
        }
    }

    /** The house for this start, some minutes after it was furnished. */
    private PinholeHouse later(long start, int minutes) {
        long kept = seed;
        PinholeHouse house = furnished(start);
        if (minutes > 0) {
            house.go(minutes);
        }
        seed = kept;
        return house;
    }

    private int whenComesAbout(long start, int room) {
        int greatest = 0;
        int best = -1;
        for (int minutes = 0; minutes < DAY; minutes += PIECE) {
            PinholeHouse house = later(start, minutes);
            for (int i = 0; i < PIECE && house.count(8) == 0; i++) {
                if (house.room(room, 6) > greatest) {
                    greatest = house.room(room, 6);
                    best = house.count(0);
                }
                house.go(1);
            }
        }
        return best;
    }

    private int bestHole(long start, int room, int minutes) {
        long kept = seed;
        int most = -1;
        int best = 0;
        for (int hole = 1; hole <= 9; hole++) {
            PinholeHouse house = furnished(start);
            house.bore(room, hole);
            int before = house.room(room, 7);
            house.go(minutes);
            if (house.room(room, 7) - before > most) {
                most = house.room(room, 7) - before;
                best = hole;
            }
        }
        seed = kept;
        return best;
    }

    private int wallsPassed(long start, int passer) {
        int walls = wallsNow(later(start, 0), passer);
        for (int minutes = 0; minutes < DAY; minutes += PIECE) {
            PinholeHouse house = later(start, minutes);
            for (int i = 0; i < PIECE && house.count(8) == 0; i++) {
                walls |= wallsNow(house, passer);
                house.go(1);
            }
        }
        return walls;
    }

    private static int wallsNow(PinholeHouse house, int passer) {
        int walls = 0;
        int rooms = house.count(4);
        for (int room = 0; room < rooms; room++) {
            if (house.bright(room, passer) >= 0) {
                walls |= 1 << room;
            }
        }
        return walls;
    }

    private void compareForeseen(PinholeHouse house, long start, int minutes) {
        long kept = seed;
        PinholeHouse other = furnished(start);
        int paid = 0;
        for (int left = minutes; left > 0; left -= 2) {
            paid += other.go(Math.min(left, 2));
        }
        Check.due(paid, house.foresee(minutes, 0));
        Check.due(other.count(5), house.foresee(minutes, 1));
        Check.due(other.count(2) - other.count(3), house.foresee(minutes, 2));
        Check.due(paid, furnished(start).go(minutes));
        seed = kept;
    }

    private static void compareSums(PinholeHouse house) {
        int people = 0;
        int shows = 0;
        int pence = 0;
        for (int room = 0; room < house.count(4); room++) {
            people += house.room(room, 5);
            shows += house.room(room, 6);
            pence += house.room(room, 7);
        }
        int seenWell = 0;
        for (int passer = 0; passer < house.count(2); passer++) {
            seenWell += house.passer(passer, 4);
        }
        Check.due(people, house.count(5));
        Check.due(shows, house.count(6));
        Check.due(shows, seenWell);
        Check.due(pence, house.count(7));
        Check.due((double) pence / house.count(0), house.mean());
    }
}
